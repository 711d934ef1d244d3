import java.lang.reflect.Method;
import java.lang.reflect.Modifier;
import java.util.TreeSet;

/** The public face: its constants, and every member as the document writes it. */
public final class FaceTest {
    private static final String[] FACE = {
        "int days(int)", "int boat()", "int certificate(int,int,int,int,int)", "int measured(int,int,int)",
        "int feed(int,int,int,int,int)", "boolean end(int)", "int fault()", "int rules(int)", "int force(int,int)",
        "int number(int,int,int)", "int race(int,int,int,int,int,int)", "boolean swift(int,int)",
        "boolean enter(int,int)", "boolean result(int,int,int,int)", "int coded(int,int,int)",
        "int corrected(int,int,int)", "int placed(int,int,int)", "boolean redress(int,int)", "int points(int,int,int)",
        "int thrown(int,int,int)", "int total(int,int)", "int ranked(int,int)",
        "int word(int,int,int,int,int,int,int)", "int protest(int,int,int,int)", "int states(int,int,int)",
        "int finding(int,int,int)", "int decide(int)", "boolean reopen(int)", "int even(int)", "int change(int,int)",
        "int middle(int,int)", "int fit(int)", "int suspect(int,int)", "boolean start(int,int,int,int)",
        "int lean(int)", "int draw(int,long)", "int told(int,int)", "int count(int)"
    };

    public static void main(String[] args) {
        Check.due("NONE", UnlikeBoats.NONE, -1);
        Check.due("HIDDEN", UnlikeBoats.HIDDEN, -1000000000);
        TreeSet<String> due = new TreeSet<>(java.util.Arrays.asList(FACE));
        TreeSet<String> found = new TreeSet<>();
        TreeSet<String> names = new TreeSet<>();
        for (Method one : UnlikeBoats.class.getDeclaredMethods()) {
            if (!Modifier.isPublic(one.getModifiers())) continue;
            found.add(written(one));
            names.add(one.getName());
        }
        Check.due("the face " + found, found.equals(due), true);
        int modifiers = UnlikeBoats.class.getModifiers();
        Check.due("public and final", Modifier.isPublic(modifiers) && Modifier.isFinal(modifiers), true);
        Check.due("one constructor", UnlikeBoats.class.getDeclaredConstructors().length, 1);
        othersAreHidden(names);
        Check.finish("FaceTest");
    }

    private static String written(Method one) {
        StringBuilder text = new StringBuilder(one.getReturnType().getName());
        text.append(' ').append(one.getName()).append('(');
        Class<?>[] types = one.getParameterTypes();
        for (int i = 0; i < types.length; i++) text.append(i > 0 ? "," : "").append(types[i].getName());
        return text.append(')').toString();
    }

    /** LANGUAGE.md, rules 1 and 11: nothing else is seen from outside, and no other method bears a name of the face. */
    private static void othersAreHidden(TreeSet<String> names) {
        for (Method one : UnlikeBoats.class.getDeclaredMethods()) {
            boolean hidden = Modifier.isPublic(one.getModifiers()) || Modifier.isPrivate(one.getModifiers());
            Check.due(one.getName() + " is public or private", hidden, true);
        }
        for (java.lang.reflect.Field one : UnlikeBoats.class.getDeclaredFields()) {
            boolean face = one.getName().equals("NONE") || one.getName().equals("HIDDEN");
            Check.due(one.getName() + " is seen", Modifier.isPrivate(one.getModifiers()), !face);
        }
        for (Class<?> inside : UnlikeBoats.class.getDeclaredClasses()) {
            Check.due(inside + " is static", Modifier.isStatic(inside.getModifiers()), true);
            for (Method one : inside.getDeclaredMethods()) {
                Check.due(one.getName() + " is no name of the face", names.contains(one.getName()), false);
                Check.due(one.getName() + " takes at most seven", one.getParameterCount() <= 7, true);
            }
            Check.due(inside + " has some twenty fields", inside.getDeclaredFields().length <= 22, true);
        }
    }
}
