import java.lang.reflect.Constructor;
import java.lang.reflect.Field;
import java.lang.reflect.Member;
import java.lang.reflect.Method;
import java.lang.reflect.Modifier;
import java.nio.file.Files;
import java.nio.file.Path;
import java.util.Arrays;
import java.util.Set;
import java.util.TreeSet;

/** The face of the document and nothing else, and some of the rules of LANGUAGE.md that the text of the program shows. */
public final class Face {
    private static final String[] METHODS = {
        "int set(int,int)", "int holiday(int,int)", "int account(int,int)", "int feed(int,int)",
        "int deposit(int,int)", "int order(int,int,int,int,int,int)", "int change(int,int,int)", "int stop(int)",
        "int goOn(int)", "int giveUp(int)", "int days(int)", "int ofDay(int,int)", "long money(int,int)",
        "long owedBits(int)", "int ofOrder(int,int)", "int ofPayment(int,int)", "int count(int)",
        "int dateOf(int,int)", "int shift(int,int)", "long balanceIn(int,int)", "int firstFailure(int)",
        "int leastDeposit(int,int)", "int ahead(int,int,int)", "int put(long)", "int wipe()", "int fault()",
        "int carryOut()", "int undo()", "int save(int)", "int restore(int)"};
    private static final String[] CONSTANTS = {
        "NO_SUCH -1", "BAD_VALUE -2", "BAD_TEXT -3", "TOO_MANY -4", "NOT_POSSIBLE -5", "NONE -6",
        "TRIES 0", "FEE 1", "RATE 2", "WEEKDAY 3"};

    public static void main(String[] args) throws Exception {
        Class<StandingPayments> face = StandingPayments.class;
        Due.is("public", Modifier.isPublic(face.getModifiers()) ? 1 : 0, 1);
        Due.is("final", Modifier.isFinal(face.getModifiers()) ? 1 : 0, 1);
        Set<String> methods = new TreeSet<>();
        for (Method method : face.getDeclaredMethods()) {
            if (isHidden(method)) continue;
            Due.is(method + " is public and not static", method.getModifiers(), Modifier.PUBLIC);
            String types = Arrays.toString(method.getParameterTypes()).replaceAll("[\\[\\] ]", "");
            methods.add(method.getReturnType() + " " + method.getName() + "(" + types + ")");
        }
        same("methods", methods, METHODS);
        Set<String> constants = new TreeSet<>();
        for (Field field : face.getDeclaredFields()) {
            if (isHidden(field)) continue;
            Due.is(field.getName() + " is a constant", field.getModifiers(),
                    Modifier.PUBLIC | Modifier.STATIC | Modifier.FINAL);
            constants.add(field.getName() + " " + field.getInt(null));
        }
        same("constants", constants, CONSTANTS);
        Constructor<?>[] constructors = face.getDeclaredConstructors();
        Due.is("one constructor", constructors.length, 1);
        Due.is("without parameters", constructors[0].getParameterCount(), 0);
        Due.is("public constructor", constructors[0].getModifiers(), Modifier.PUBLIC);
        classesInside(face);
        textOfTheProgram();
        Due.end();
    }

    private static boolean isHidden(Member member) {
        return Modifier.isPrivate(member.getModifiers()) || member.isSynthetic();
    }

    private static void same(String what, Set<String> got, String[] due) {
        Set<String> wanted = new TreeSet<>(Arrays.asList(due));
        if (!got.equals(wanted)) System.out.println(what + ": " + got + ", due are " + wanted);
        Due.is(what, got.equals(wanted) ? 1 : 0, 1);
    }

    private static void classesInside(Class<?> face) {
        Due.is("at most twelve classes", face.getDeclaredClasses().length < 12 ? 1 : 0, 1);
        Set<String> names = new TreeSet<>();
        for (String method : METHODS) names.add(method.replaceAll("^\\w+ |\\(.*", ""));
        for (Method method : face.getDeclaredMethods()) {
            if (isHidden(method)) Due.is(method.getName(), names.contains(method.getName()) ? 1 : 0, 0);
        }
        for (Class<?> inside : face.getDeclaredClasses()) {
            Due.is(inside + " is static", Modifier.isStatic(inside.getModifiers()) ? 1 : 0, 1);
            Due.is(inside + " is not public", Modifier.isPublic(inside.getModifiers()) ? 1 : 0, 0);
            int fields = 0;
            for (Field field : inside.getDeclaredFields()) {
                if (!Modifier.isStatic(field.getModifiers())) fields++;
                else Due.is(field + " is final", Modifier.isFinal(field.getModifiers()) ? 1 : 0, 1);
            }
            Due.is(inside + " has some twenty fields", fields <= 20 ? 1 : 0, 1);
            for (Method method : inside.getDeclaredMethods()) {
                Due.is(method + " has a name of its own", names.contains(method.getName()) ? 1 : 0, 0);
                Due.is(method + " has few parameters", method.getParameterCount() <= 7 ? 1 : 0, 1);
            }
        }
    }

    private static void textOfTheProgram() throws Exception {
        String text = Files.readString(Path.of("src/main/java/StandingPayments.java"));
        for (int i = 0; i < text.length(); i++) if (text.charAt(i) > 126) Due.is("sign " + i, text.charAt(i), 126);
        String code = text.replaceAll("(?s)/\\*.*?\\*/|//[^\n]*", "");
        String[] ruledOut = {"Double.", "Float.", "Exact", "->", "::", "try", "catch", "throw", "synchronized",
            "assert ", "finally", "package ", "instanceof", "System.out", "nanoTime", "currentTimeMillis", "Random",
            "Thread", ".equals", "hashCode", "toString", "static {", "var "};
        for (String word : ruledOut) {
            // "tries" and "retry" are no "try": the word stands alone.
            String pattern = word.matches("[a-z]+") ? "\\b" + word + "\\b" : java.util.regex.Pattern.quote(word);
            Due.is("no " + word, java.util.regex.Pattern.compile(pattern).matcher(code).find() ? 1 : 0, 0);
        }
        String imports = code.replaceAll("(?s)public final class.*", "").trim();
        Due.is("the one import", imports.equals("import java.util.Arrays;") ? 1 : 0, 1);
    }
}
