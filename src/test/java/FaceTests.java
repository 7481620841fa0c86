import java.lang.reflect.Field;
import java.lang.reflect.Method;
import java.lang.reflect.Modifier;
import java.nio.file.Files;
import java.nio.file.Path;
import java.util.Arrays;
import java.util.List;
import java.util.TreeSet;
import java.util.regex.Matcher;
import java.util.regex.Pattern;

/** The public face is the document's and no more, and the source keeps clear of what LANGUAGE.md bars by name. */
public final class FaceTests {
    private static final String[] FACE = {
        "int write(int)", "int wipe()", "int fault()", "int county()", "int person(int,int)",
        "int oath(int,int)", "int day()", "int drum(int,int)", "int swear(int)", "int form(int)",
        "int move(int,int)", "int wool(int)", "int undo()", "int later(int,int)", "int lasts(int)",
        "int best(int,int,int)", "int frees(int,int)", "int judge(int,long)", "int hear(int,int,int)",
        "int unhear()", "int which(int)", "int share(int,boolean)", "int rests(int,int,int)",
        "int comes(int,int,int,boolean)", "long seed(long)", "int years(int)", "int keep(int)",
        "int again(int)", "int count(int)"};

    private static final List<String> CONSTANTS = List.of("UNKNOWN", "OUTSIDE", "STATE", "FULL", "NONE");

    private static final String[] BARRED = {
        "throw", "throws", "try", "catch", "synchronized", "assert", "import", "package", "->", "::",
        "\\w+Exact", "System\\.(?!arraycopy)\\w+", "Random", "Thread", "protected", "while"};

    /** Of the library only what LANGUAGE.md lists, and of that only what the class needs. */
    private static final List<String> LIBRARY = List.of("System.arraycopy", "Math.floorMod", "Math.max", "Math.min", "Integer.bitCount");

    private static final int MOST_PARAMETERS = 7;
    private static final int MOST_LINES = 60;
    private static final int MOST_FIELDS = 20;

    public static void main(String[] args) throws Exception {
        Check check = new Check();
        TreeSet<String> open = new TreeSet<>();
        TreeSet<String> closed = new TreeSet<>();
        for (Method m : ClapOaths.class.getDeclaredMethods()) {
            if (Modifier.isPrivate(m.getModifiers())) {
                closed.add(m.getName());
            } else {
                open.add(told(m));
            }
        }
        check.due("methods " + open, open.equals(new TreeSet<>(Arrays.asList(FACE))) ? 1 : 0, 1);
        for (String line : FACE) {
            String name = line.substring(line.indexOf(' ') + 1, line.indexOf('('));
            check.due("a private method named " + name, closed.contains(name) ? 1 : 0, 0);
        }
        membersAreClosed(check);
        check.due("final", Modifier.isFinal(ClapOaths.class.getModifiers()) ? 1 : 0, 1);
        check.due("constructors", ClapOaths.class.getConstructors().length, 1);
        check.due("constants", ClapOaths.class.getFields().length, 5);
        check.due("UNKNOWN", ClapOaths.UNKNOWN, -1);
        check.due("OUTSIDE", ClapOaths.OUTSIDE, -2);
        check.due("STATE", ClapOaths.STATE, -3);
        check.due("FULL", ClapOaths.FULL, -4);
        check.due("NONE", ClapOaths.NONE, -9);
        sourceKeepsTheRules(check);
        sizesAreKept(check, ClapOaths.class);
        for (Class<?> inside : ClapOaths.class.getDeclaredClasses()) {
            sizesAreKept(check, inside);
        }
        check.end("FaceTests");
    }

    /** All but the face and the classes inside is private, and what is static never changes. */
    private static void membersAreClosed(Check check) {
        for (Field field : ClapOaths.class.getDeclaredFields()) {
            boolean open = Modifier.isPublic(field.getModifiers());
            boolean constant = Modifier.isStatic(field.getModifiers()) && Modifier.isFinal(field.getModifiers());
            boolean isFace = CONSTANTS.contains(field.getName()) && constant && field.getType() == int.class;
            check.due("the field " + field.getName(), open == isFace && (open || Modifier.isPrivate(field.getModifiers())) ? 1 : 0, 1);
        }
        Class<?>[] inside = ClapOaths.class.getDeclaredClasses();
        check.due("no more than twelve classes", inside.length < 12 ? 1 : 0, 1);
        for (Class<?> one : inside) {
            int is = one.getModifiers();
            check.due("the class " + one.getName(), Modifier.isStatic(is) && !Modifier.isPublic(is) && !Modifier.isProtected(is) ? 1 : 0, 1);
            for (Field field : one.getDeclaredFields()) {
                boolean kept = !Modifier.isStatic(field.getModifiers()) || Modifier.isFinal(field.getModifiers());
                check.due("the field " + one.getName() + "." + field.getName(), kept ? 1 : 0, 1);
            }
        }
    }

    private static String told(Method m) {
        StringBuilder line = new StringBuilder(m.getReturnType().getName()).append(' ').append(m.getName()).append('(');
        for (int i = 0; i < m.getParameterCount(); i++) {
            line.append(i == 0 ? "" : ",").append(m.getParameterTypes()[i].getName());
        }
        return line.append(')').toString();
    }

    private static void sourceKeepsTheRules(Check check) throws Exception {
        String source = Files.readString(Path.of("src/main/java/ClapOaths.java"));
        String bare = source.replaceAll("(?s)/\\*.*?\\*/", " ").replaceAll("//[^\n]*", " ");
        for (String word : BARRED) {
            String edge = Character.isLetter(word.charAt(0)) ? "\\b" : "";
            check.due("the source has " + word, Pattern.compile(edge + word + edge).matcher(bare).find() ? 1 : 0, 0);
        }
        check.due("signs beyond 127", source.chars().anyMatch(c -> c > 127) ? 1 : 0, 0);
        Matcher library = Pattern.compile("\\b([A-Z][a-z]\\w*\\.\\w+)\\(").matcher(bare);
        while (library.find()) {
            check.due("the library's " + library.group(1), LIBRARY.contains(library.group(1)) ? 1 : 0, 1);
        }
        methodsAreShort(check, bare.split("\n"));
    }

    private static void sizesAreKept(Check check, Class<?> one) {
        for (Method m : one.getDeclaredMethods()) {
            check.due("parameters of " + m.getName(), m.getParameterCount() <= MOST_PARAMETERS ? 1 : 0, 1);
        }
        long fields = Arrays.stream(one.getDeclaredFields()).filter(f -> !Modifier.isStatic(f.getModifiers())).count();
        check.due("fields of " + one.getName(), fields <= MOST_FIELDS ? 1 : 0, 1);
    }

    /** No method is long, and none but a constructor makes anything. */
    private static void methodsAreShort(Check check, String[] lines) {
        Pattern opening = Pattern.compile("( {4}| {8})(?! )(.*\\b(\\w+)\\([^()]*\\) \\{)");
        Pattern constructor = Pattern.compile("(public )?[A-Z]\\w*\\(.*");
        int methods = 0;
        for (int from = 0; from < lines.length; from++) {
            Matcher method = opening.matcher(lines[from]);
            if (method.matches() && !method.group(3).matches("if|for|switch|while")) {
                int to = from;
                boolean makes = false;
                while (!lines[to].equals(method.group(1) + "}")) {
                    makes |= lines[to].matches(".*\\bnew\\b.*");
                    to++;
                }
                methods++;
                check.due("lines of " + method.group(3), to - from + 1 <= MOST_LINES ? 1 : 0, 1);
                boolean mayMake = constructor.matcher(method.group(2)).matches();
                check.due(method.group(3) + " makes something", makes && !mayMake ? 1 : 0, 0);
            }
        }
        check.due("methods were found in the source", methods > FACE.length ? 1 : 0, 1);
    }
}
