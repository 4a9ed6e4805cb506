import java.io.IOException;
import java.lang.reflect.Constructor;
import java.lang.reflect.Field;
import java.lang.reflect.Method;
import java.lang.reflect.Modifier;
import java.nio.file.Files;
import java.nio.file.Path;
import java.util.Arrays;
import java.util.Set;
import java.util.TreeSet;
import java.util.regex.Matcher;
import java.util.regex.Pattern;

/** The public face, and those rules of ../shared/LANGUAGE.md that can be seen in the class or its text. */
public final class FaceTest {
  private static final String[] FACE = {
      "int feed(int)", "int plate()", "int mark(int,int,int,int)", "int of(int,int)", "int row(int,int,int)", "int told(int)",
      "int cut(int,int)", "int rest(int)", "int mend(int)", "int over(int)", "int print(int)", "int dark(int,int)",
      "int good(int)", "int first()", "int faded(int)", "int order(int)", "int rested()", "long flaws(int)", "long clean(int)",
      "int mirror(int)", "int beside(int)", "int crowd()", "int room(int)", "int proof(int)", "int proofs()", "int mends()",
      "int worth(int)", "int best()", "int see(int,int)", "int ran(int)", "int hand(int)", "int errs()",
      "long odds(int,int,int)", "long mean(int,int)", "int plan(int,int)", "int done(int)", "int book(int,int,int)",
      "int looked()", "int act(int,int,int)", "int trace(int)", "int as(int,int)", "int image()", "int undo()",
      "int count(int)"};

  private static String signature(Method m) {
    StringBuilder s = new StringBuilder(m.getReturnType().getName()).append(' ').append(m.getName()).append('(');
    for (Class<?> p : m.getParameterTypes()) {
      s.append(s.charAt(s.length() - 1) == '(' ? "" : ",").append(p.getName());
    }
    return s.append(')').toString();
  }

  private static void constants() {
    Check.due("NONE", MirrorPlate.NONE, -1);
    Check.due("BAD", MirrorPlate.BAD, -2);
    Check.due("STATE", MirrorPlate.STATE, -3);
    Check.due("FULL", MirrorPlate.FULL, -4);
    Check.due("NO", MirrorPlate.NO, Long.MIN_VALUE);
  }

  private static void face() {
    Class<?> c = MirrorPlate.class;
    Check.holds("public and final", Modifier.isPublic(c.getModifiers()) && Modifier.isFinal(c.getModifiers()));
    Set<String> face = new TreeSet<>(Arrays.asList(FACE));
    Set<String> names = new TreeSet<>();
    for (String s : FACE) {
      names.add(s.substring(s.indexOf(' ') + 1, s.indexOf('(')));
    }
    Set<String> found = new TreeSet<>();
    for (Method m : c.getDeclaredMethods()) {
      if (Modifier.isPrivate(m.getModifiers())) {
        Check.holds("no private " + m.getName(), !names.contains(m.getName()));
      } else {
        Check.holds("public and of the object: " + m, Modifier.isPublic(m.getModifiers()) && !Modifier.isStatic(m.getModifiers()));
        found.add(signature(m));
      }
    }
    Check.holds("the methods are the face: " + found, found.equals(face));
    Check.due("constructors", c.getDeclaredConstructors().length, 1);
    for (Constructor<?> made : c.getDeclaredConstructors()) {
      Check.holds("public, of nothing", Modifier.isPublic(made.getModifiers()) && made.getParameterCount() == 0);
    }
    Set<String> constants = new TreeSet<>();
    int fields = 0;
    for (Field f : c.getDeclaredFields()) {
      if (!Modifier.isPrivate(f.getModifiers())) {
        constants.add(f.toGenericString());
      }
      fields += Modifier.isStatic(f.getModifiers()) ? 0 : 1;
      Check.holds("static is final: " + f, !Modifier.isStatic(f.getModifiers()) || Modifier.isFinal(f.getModifiers()));
    }
    Check.holds("the constants: " + constants, constants.equals(new TreeSet<>(Arrays.asList(
        "public static final int MirrorPlate.NONE", "public static final int MirrorPlate.BAD",
        "public static final int MirrorPlate.STATE", "public static final int MirrorPlate.FULL",
        "public static final long MirrorPlate.NO"))));
    Check.holds("some twenty fields at most", fields <= 20);
    classesInside(c, names);
  }

  private static void classesInside(Class<?> c, Set<String> names) {
    Check.holds("some twelve classes", c.getDeclaredClasses().length + 1 <= 12);
    for (Class<?> inside : c.getDeclaredClasses()) {
      Check.holds("static: " + inside, Modifier.isStatic(inside.getModifiers()));
      Check.holds("not seen from outside: " + inside,
          !Modifier.isPublic(inside.getModifiers()) && !Modifier.isProtected(inside.getModifiers()));
      int fields = 0;
      for (Field f : inside.getDeclaredFields()) {
        fields += Modifier.isStatic(f.getModifiers()) ? 0 : 1;
        Check.holds("static is final: " + f, !Modifier.isStatic(f.getModifiers()) || Modifier.isFinal(f.getModifiers()));
      }
      Check.holds("some twenty fields at most: " + inside, fields <= 20);
      for (Method m : inside.getDeclaredMethods()) {
        Check.holds("not a name of the face: " + m, !names.contains(m.getName()));
        Check.holds("seven parameters at most: " + m, m.getParameterCount() <= 7);
      }
    }
  }

  private static void text() throws IOException {
    String source = Files.readString(Path.of("src/main/java/MirrorPlate.java"));
    String code = source.replaceAll("(?s)/\\*.*?\\*/", "").replaceAll("//[^\n]*", "");
    String bare = code.replaceAll("\"[^\"\n]*\"", "\"\"").replaceAll("'[^'\n]+'", "''");
    Matcher forbidden = Pattern.compile("\\b(throw|throws|try|catch|finally|synchronized|assert|import|package|native|volatile"
        + "|protected|System|Thread|Random|Class|Object|@\\w+|\\w+Exact|equals|hashCode|toString)\\b|@|->|::").matcher(bare);
    while (forbidden.find()) {
      Check.holds("the program may not say " + forbidden.group(), false);
    }
    Check.holds("no text is joined by +", !Pattern.compile("\"\"\\s*\\+|\\+\\s*\"\"").matcher(bare).find());
    Check.holds("signs are 1 to 127", source.chars().allMatch(c -> c > 0 && c < 128));
    Matcher method = Pattern.compile("(?m)^( {2,4})(?:\\w[\\w\\[\\] ]* )?\\w+\\([^;\n]*\\) \\{\n(?:.*\n)*?\\1\\}").matcher(bare);
    int methods = 0;
    while (method.find()) {
      methods++;
      Check.holds("a short method: " + method.group().lines().findFirst().orElse(""), method.group().lines().count() <= 60);
    }
    Check.holds("methods were found", methods > 100);
  }

  public static void main(String[] args) throws IOException {
    constants();
    face();
    text();
    Check.finish();
  }
}
