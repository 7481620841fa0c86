/** Counts the answers of the project's tests and prints each one that is not as due. */
final class Check {
    private int right = 0;
    private int wrong = 0;

    void due(String what, long got, long want) {
        if (got == want) {
            right++;
        } else {
            wrong++;
            System.out.println(what + " answered " + got + ", due is " + want);
        }
    }

    void same(String what, String got, String want) {
        if (got.equals(want)) {
            right++;
        } else {
            wrong++;
            System.out.println(what + ":\n  is     " + got + "\n  due is " + want);
        }
    }

    /** Writes a text in place of the one that an object has. */
    static void tell(ClapOaths x, String text) {
        x.wipe();
        for (int i = 0; i < text.length(); i++) {
            x.write(text.charAt(i));
        }
    }

    /** A new object whose county is the text. */
    static ClapOaths of(String text) {
        ClapOaths x = new ClapOaths();
        tell(x, text);
        if (x.county() < 0) {
            throw new IllegalStateException("no county: " + text);
        }
        return x;
    }

    void end(String name) {
        System.out.println(name + ": " + right + " passed, " + wrong + " failed");
        if (wrong != 0) {
            System.exit(1);
        }
    }
}
