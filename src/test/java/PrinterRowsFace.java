import java.lang.reflect.Constructor;
import java.lang.reflect.Field;
import java.lang.reflect.Method;
import java.lang.reflect.Modifier;
import java.util.Set;
import java.util.TreeSet;

/** The class shows the document's face and no more (rule 1 of LANGUAGE.md). */
public final class PrinterRowsFace {
    private static final Set<String> FACE = Set.of(
        "public static final int PrinterRows.NONE",
        "public PrinterRows(int,int)",
        "public int PrinterRows.channel(int,int)",
        "public void PrinterRows.sign(int)",
        "public int PrinterRows.line(int)",
        "public int PrinterRows.skip(int)",
        "public int PrinterRows.end()",
        "public int PrinterRows.at(int,int,int) throws java.lang.ArrayIndexOutOfBoundsException",
        "public int PrinterRows.over(int,int)",
        "public int PrinterRows.translate(int,int)",
        "public int PrinterRows.copies(int,int,int)",
        "public int PrinterRows.back(int)",
        "public int PrinterRows.forms(int)",
        "public int PrinterRows.tally(int)");

    public static void main(String[] args) {
        Set<String> shown = new TreeSet<>();
        Set<String> publicNames = new TreeSet<>();
        Set<String> privateNames = new TreeSet<>();
        for (Field field : PrinterRows.class.getDeclaredFields()) {
            addUnlessPrivate(shown, field.getModifiers(), field.toString());
        }
        for (Constructor<?> constructor : PrinterRows.class.getDeclaredConstructors()) {
            addUnlessPrivate(shown, constructor.getModifiers(), constructor.toString());
        }
        for (Method method : PrinterRows.class.getDeclaredMethods()) {
            addUnlessPrivate(shown, method.getModifiers(), method.toString());
            (Modifier.isPrivate(method.getModifiers()) ? privateNames : publicNames).add(method.getName());
        }
        privateNames.retainAll(publicNames);
        int modifiers = PrinterRows.class.getModifiers();
        boolean right = shown.equals(FACE) && privateNames.isEmpty()
            && Modifier.isPublic(modifiers) && Modifier.isFinal(modifiers);
        if (!right) {
            System.out.println("the face is " + shown + ", due is " + new TreeSet<>(FACE)
                + ", private methods with a public name: " + privateNames);
            System.exit(1);
        }
        System.out.println("the face is as due");
    }

    private static void addUnlessPrivate(Set<String> shown, int modifiers, String text) {
        if (!Modifier.isPrivate(modifiers)) {
            shown.add(text);
        }
    }
}
