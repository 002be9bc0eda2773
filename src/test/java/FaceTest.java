import java.io.IOException;
import java.lang.reflect.Constructor;
import java.lang.reflect.Field;
import java.lang.reflect.Method;
import java.lang.reflect.Modifier;
import java.nio.file.Files;
import java.nio.file.Path;
import java.util.Arrays;
import java.util.Set;
import java.util.TreeSet;
import java.util.regex.Matcher;
import java.util.regex.Pattern;

/** The public face, as the document has it, and what LANGUAGE.md rules out, as far as a look can tell. */
public final class FaceTest {
  private static final String[] FACE = {
    "int lake(int,int,int,int)", "int head(int,int,int)", "int end(int,int)", "int weeks(int,int)",
    "int price(int,int)", "int node(int,int,int)", "int about(int,int)", "int count(int)",
    "long worth(int,int)", "int policy(int,int,int)", "long water(int,int,int)", "int needs(int,long)",
    "int rule(int,int,int)", "long mean(int,int)", "long worst(int,int)", "int lack(int,int)",
    "int flood(int,int,int,int)", "int cases(int)", "int begin(int)", "int week(int,int)", "int best(int)",
    "int ruled(int)", "int undo()", "int stop()", "int now(int)"
  };
  private static final String[] RULED_OUT = {
    "\\bthrow\\b", "\\bthrows\\b", "\\btry\\b", "\\bcatch\\b", "\\bsynchronized\\b", "\\bassert\\b", "->", "::",
    "Exact\\b", "MAX_VALUE", "MIN_VALUE", "\\bSystem\\.(?!arraycopy)", "\\bObject\\b", "\\bThread\\b", "\\bMath\\.random",
    "\\bprotected\\b", "\\bdouble\\b", "\\bfloat\\b", "\\bpackage\\b", "\\.equals\\(", "hashCode", "toString"
  };
  private static int wrong = 0;

  private static void expect(boolean holds, String what) {
    if (holds) return;
    wrong++;
    System.out.println("not so: " + what);
  }

  public static void main(String[] args) throws IOException {
    expect(Modifier.isFinal(LakeChain.class.getModifiers()), "the class is final");
    methods();
    fields();
    Constructor<?>[] made = LakeChain.class.getDeclaredConstructors();
    expect(made.length == 1 && made[0].getParameterCount() == 0 && Modifier.isPublic(made[0].getModifiers()),
        "one public constructor without parameters");
    for (Class<?> c : LakeChain.class.getDeclaredClasses()) {
      expect(Modifier.isStatic(c.getModifiers()), c.getName() + " is static");
      expect(c.getDeclaredFields().length <= 22, c.getName() + " has some twenty fields");
    }
    source();
    System.out.println(wrong == 0 ? "the face is as told" : wrong + " things are not as told");
    if (wrong != 0) System.exit(1);
  }

  private static void methods() {
    Set<String> due = new TreeSet<>(Arrays.asList(FACE));
    Set<String> found = new TreeSet<>();
    Set<String> names = new TreeSet<>();
    for (Method m : LakeChain.class.getDeclaredMethods()) {
      if (!Modifier.isPublic(m.getModifiers())) continue;
      StringBuilder text = new StringBuilder(m.getReturnType() + " " + m.getName() + "(");
      for (Class<?> p : m.getParameterTypes()) text.append(text.charAt(text.length() - 1) == '(' ? "" : ",").append(p);
      found.add(text + ")");
      names.add(m.getName());
    }
    expect(due.equals(found), "the public methods are " + due + ", found " + found);
    for (Method m : LakeChain.class.getDeclaredMethods()) {
      if (Modifier.isPublic(m.getModifiers())) continue;
      expect(Modifier.isPrivate(m.getModifiers()), m.getName() + " is private");
      expect(!names.contains(m.getName()), m.getName() + " bears no public name");
    }
    for (Class<?> c : LakeChain.class.getDeclaredClasses()) {
      for (Method m : c.getDeclaredMethods()) {
        expect(!names.contains(m.getName()), c.getName() + "." + m.getName() + " bears no public name");
        expect(m.getParameterCount() <= 7, m.getName() + " has at most seven parameters");
      }
    }
  }

  private static void fields() {
    Set<String> constants = new TreeSet<>(Arrays.asList("BAD", "BUSY", "ROUGH", "OVER", "FULL"));
    for (Field f : LakeChain.class.getDeclaredFields()) {
      int how = f.getModifiers();
      if (constants.contains(f.getName())) {
        expect(Modifier.isPublic(how) && Modifier.isStatic(how) && Modifier.isFinal(how), f.getName() + " is a constant");
      } else {
        expect(Modifier.isPrivate(how), f.getName() + " is private");
      }
      if (Modifier.isStatic(how)) expect(Modifier.isFinal(how), f.getName() + " is final");
    }
  }

  private static void source() throws IOException {
    String all = Files.readString(Path.of("src/main/java/LakeChain.java"));
    String code = all.replaceAll("(?s)/\\*.*?\\*/", "").replaceAll("//[^\n]*", "");
    for (String no : RULED_OUT) expect(!Pattern.compile(no).matcher(code).find(), "the source has no " + no);
    Matcher imports = Pattern.compile("import\\s+([^;]+);").matcher(code);
    while (imports.find()) {
      expect(imports.group(1).matches("java\\.util\\.(Arrays|ArrayList|List|Iterator)"), "import " + imports.group(1));
    }
    for (char c : all.toCharArray()) expect(c == '\n' || c >= ' ' && c < 127, "plain signs alone: " + (int) c);
  }
}
