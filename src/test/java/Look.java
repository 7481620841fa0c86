/**
 * What an object shows, as one text: two objects that look the same hold the same.
 * An object answers as promised for 512 calls only, so each look is kept small.
 */
final class Look {
    private Look() {
    }

    /** Places, wool, oaths that are sworn, the worth and the day: what an act can change and a slot keeps. 9 calls. */
    static String standing(ClapOaths x) {
        StringBuilder look = new StringBuilder("day ").append(x.count(4)).append(" sworn ").append(x.count(5));
        look.append(" worth ").append(x.count(6)).append(" wool ").append(x.count(7)).append(" at");
        for (int person = 0; person < 5; person++) {
            look.append(' ').append(x.person(person, 0));
        }
        return look.toString();
    }

    /** All that can be asked for without a change. 69 calls. */
    static String all(ClapOaths x) {
        StringBuilder look = new StringBuilder("fault ").append(x.fault());
        for (int what = 0; what <= 10; what++) {
            look.append(what == 0 ? " count " : ",").append(x.count(what));
        }
        for (int person = 0; person < 5; person++) {
            for (int what = 0; what <= 5; what++) {
                look.append(what == 0 ? " person " : ",").append(x.person(person, what));
            }
        }
        for (int oath = 0; oath < 5; oath++) {
            for (int what = 0; what <= 4; what++) {
                look.append(what == 0 ? " oath " : ",").append(x.oath(oath, what));
            }
        }
        return look.append(" which ").append(x.which(0)).append(',').append(x.which(1)).toString();
    }

    /**
     * All that the object holds, the row of acts, the slots, the seed and the text too; it is used up by it.
     * Some 300 calls at most.
     */
    static String toTheGround(ClapOaths x) {
        StringBuilder look = new StringBuilder(all(x));
        look.append("\n  seed ").append(x.seed(0L));
        int left = x.undo();
        for (int i = 0; i < 20 && left >= 0; i++) {
            look.append("\n  undone, left ").append(left).append(": ").append(standing(x));
            left = x.undo();
        }
        for (int slot = 0; slot <= 1; slot++) {
            look.append("\n  slot ").append(slot).append(": ").append(x.again(slot)).append(' ').append(standing(x));
        }
        look.append("\n  county ").append(x.county()).append(": ").append(all(x));
        return look.append("\n  unheard ").append(x.unhear()).append(" wiped ").append(x.wipe()).toString();
    }
}
