import java.lang.reflect.Constructor;
import java.lang.reflect.Field;
import java.lang.reflect.Method;
import java.lang.reflect.Modifier;
import java.util.TreeSet;

/** The face of the class is that of the document, with the exceptions that it tells, and nothing else. */
public final class FaceTest {
  private static final String[] FACE = {
      "int line(int,int,int,int,int,int) XAS", "int more(int,int,int,int,int,int) XAS", "int strike(int,int) X",
      "int empty(int) X", "String piece(int) A", "boolean isApart(int,int) A", "int paste(int,int) A",
      "String text(int,int) X", "int words(int,int) X", "String word(int,int,int) X",
      "int ofWord(int,int,int,int) XA", "int number(int,int,int) XS", "String plain(int,int) X",
      "String quoted(int,int) X", "String again(int,int,int) X", "int run(int) X", "int ofRun(int) A",
      "int ofFile(int,int) XA", "String outWord(int) X", "int ofOut(int,int) XA", "String outLine(int) X",
      "int chain(int,int) X", "boolean hides(int,int) XA", "String trace(int) X", "int ofError(int,int) XA",
      "String errorText(int) X", "String name(int) X", "int ofName(int,int) XA", "String body(int) X",
      "String lean(int) X", "String unused(int) X", "boolean isDefined(int) A", "int reckon(int,int) XS",
      "String would(int,int) X", "int ofWould(int,int,int) XA", "int load(int,int) X", "int step() ", "int finish() ",
      "int ahead() S", "int back() S", "int drop() S", "int put(int) AS", "int swap(int) AS", "int tail(int) AS",
      "int cursor(int) XS", "String desk() ", "int ofDesk(int) A", "int knock() ", "boolean isSound() ", "long digest() "};

  private static String told(Method m) {
    StringBuilder b = new StringBuilder();
    b.append(m.getReturnType().getSimpleName()).append(' ').append(m.getName()).append('(');
    for (int i = 0; i < m.getParameterCount(); i++) {
      b.append(i > 0 ? "," : "").append(m.getParameterTypes()[i].getSimpleName());
    }
    b.append(") ");
    for (Class<?> e : m.getExceptionTypes()) {
      b.append(e == IndexOutOfBoundsException.class ? 'X' : e == IllegalArgumentException.class ? 'A' : 'S');
    }
    return b.toString();
  }

  public static void main(String[] args) {
    Class<?> c = Wordbefore.class;
    TreeSet<String> wrong = new TreeSet<>();
    for (String s : FACE) {
      wrong.add(s);
    }
    for (Method m : c.getDeclaredMethods()) {
      if (!Modifier.isPrivate(m.getModifiers()) && !m.isSynthetic() && !wrong.remove(told(m))) {
        wrong.add("not of the face: " + told(m));
      }
    }
    for (Field f : c.getDeclaredFields()) {
      if (!Modifier.isPrivate(f.getModifiers())) {
        wrong.add("a field that is seen: " + f.getName());
      }
    }
    for (Constructor<?> k : c.getDeclaredConstructors()) {
      if (k.getParameterCount() > 0 || !Modifier.isPublic(k.getModifiers())) {
        wrong.add("a constructor that is not of the face");
      }
    }
    for (String s : wrong) {
      System.out.println(s);
    }
    if (!wrong.isEmpty() || !Modifier.isFinal(c.getModifiers()) || !Modifier.isPublic(c.getModifiers())) {
      System.exit(1);
    }
  }
}
