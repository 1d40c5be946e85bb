import java.lang.reflect.Constructor;
import java.lang.reflect.Field;
import java.lang.reflect.Method;
import java.lang.reflect.Modifier;
import java.util.Arrays;
import java.util.TreeSet;

/** The public face: just the members that the document tells, and nothing of the rest to be seen. */
public final class FaceTest {
    private static final String[] METHODS = {
        "int feed(int,int,int,int,int)", "boolean end(int)", "int fault(int)", "int text(int)", "int rule(int)",
        "int lodger(int,int)", "int caller(int,int) NoSuchElementException", "boolean law(int)", "boolean whim(int)",
        "int announce(int)", "int title(int)", "int drop(int)", "int sing()", "int breath()", "int hold(int)", "int day()",
        "int years(int,long)", "int undo()", "int log(int,int)", "int step(int,int,int)", "int run(int,int)", "int perform(int)",
        "int name(int,int)", "int order(int)", "int needs(int)", "int timed(int)", "int heard(int,int,boolean)", "int hards(int)",
        "int ask(int)", "int apart(int)", "int game(int,int,int,int,int)", "int rests(int,int,int)", "int odds(int,int)",
        "int mean(int)", "int all(int)", "int whose(int)", "int queue(int)", "int sung(int,int)", "int span(int)", "int image()",
        "int back()", "int count(int)"};

    public static void main(String[] args) throws Exception {
        TreeSet<String> want = new TreeSet<>(Arrays.asList(METHODS));
        TreeSet<String> got = new TreeSet<>();
        TreeSet<String> names = new TreeSet<>();
        for (Method m : NamedCallers.class.getDeclaredMethods()) {
            if (!Modifier.isPrivate(m.getModifiers())) {
                got.add(signature(m));
                names.add(m.getName());
            }
        }
        for (Method m : NamedCallers.class.getDeclaredMethods()) {
            boolean hidden = Modifier.isPrivate(m.getModifiers());
            Checks.due("private " + m.getName() + " bears a public name", hidden && names.contains(m.getName()), false);
            Checks.due(m.getName() + " is private or public", hidden || Modifier.isPublic(m.getModifiers()), true);
        }
        if (!got.equals(want)) {
            System.out.println("got " + got + "\nwant " + want);
        }
        Checks.due("the methods", got.equals(want), true);
        for (Field f : NamedCallers.class.getDeclaredFields()) {
            boolean constant = f.getName().equals("NONE") || f.getName().equals("HIDDEN");
            Checks.due("field " + f.getName(), Modifier.isPublic(f.getModifiers()), constant);
            Checks.due("field " + f.getName() + " is private", Modifier.isPrivate(f.getModifiers()), !constant);
        }
        Constructor<?>[] constructors = NamedCallers.class.getDeclaredConstructors();
        Checks.due("constructors", constructors.length, 1);
        Checks.due("it takes nothing", constructors[0].getParameterCount(), 0);
        Checks.due("it is public", Modifier.isPublic(constructors[0].getModifiers()), true);
        Checks.due("a final class", Modifier.isFinal(NamedCallers.class.getModifiers()), true);
        Checks.due("NONE", NamedCallers.NONE, -1);
        Checks.due("HIDDEN", NamedCallers.HIDDEN, -1000000);
        Checks.finish();
    }

    private static String signature(Method m) {
        StringBuilder b = new StringBuilder(m.getReturnType().getSimpleName()).append(' ').append(m.getName()).append('(');
        String comma = "";
        for (Class<?> type : m.getParameterTypes()) {
            b.append(comma).append(type.getSimpleName());
            comma = ",";
        }
        b.append(')');
        for (Class<?> type : m.getExceptionTypes()) {
            b.append(' ').append(type.getSimpleName());
        }
        return b.toString();
    }
}
