import com.sun.source.tree.CompilationUnitTree;
import com.sun.source.tree.MethodInvocationTree;
import com.sun.source.tree.MethodTree;
import com.sun.source.tree.NewClassTree;
import com.sun.source.util.JavacTask;
import com.sun.source.util.TreePathScanner;
import com.sun.source.util.Trees;
import java.io.File;
import java.io.IOException;
import java.util.ArrayDeque;
import java.util.Deque;
import java.util.HashMap;
import java.util.LinkedHashSet;
import java.util.List;
import java.util.Map;
import java.util.Set;
import javax.lang.model.element.Element;
import javax.tools.JavaCompiler;
import javax.tools.StandardJavaFileManager;
import javax.tools.ToolProvider;

/** Rules 8 and 11 of LANGUAGE.md: no method calls itself, over others neither, and calls go eight deep at most. */
public final class CallDepthTest {
  private static final File SOURCE = new File("src/main/java/WantedTypes.java");
  private static final int DEEPEST = 8;

  /** Who calls whom, each told by its class and its head, as the compiler finds it. */
  private static final class Calls extends TreePathScanner<Void, Void> {
    private final Trees trees;
    private final Map<String, Set<String>> calls = new HashMap<>();
    private String within = "";

    Calls(Trees trees) {
      this.trees = trees;
    }

    @Override
    public Void visitMethod(MethodTree method, Void none) {
      within = name(trees.getElement(getCurrentPath()));
      calls.put(within, new LinkedHashSet<>());
      super.visitMethod(method, none);
      within = "";
      return null;
    }

    @Override
    public Void visitMethodInvocation(MethodInvocationTree call, Void none) {
      note();
      return super.visitMethodInvocation(call, none);
    }

    @Override
    public Void visitNewClass(NewClassTree call, Void none) {
      note();
      return super.visitNewClass(call, none);
    }

    private void note() {
      if (!within.isEmpty()) calls.get(within).add(name(trees.getElement(getCurrentPath())));
    }

    private static String name(Element method) {
      return method.getEnclosingElement().getSimpleName() + "." + method;
    }
  }

  public static void main(String[] args) throws IOException {
    if (ToolProvider.getSystemJavaCompiler() == null) {
      System.out.println("this java has no compiler in it: how deep calls go was not looked at");
      return;
    }
    Map<String, Set<String>> calls = read();
    Map<String, Integer> depths = new HashMap<>();
    int wrong = 0;
    int deepest = 0;
    for (String method : calls.keySet()) {
      int depth = depth(method, calls, depths, new ArrayDeque<>());
      deepest = Math.max(deepest, depth);
      if (depth <= DEEPEST) continue;
      wrong++;
      System.out.println("calls go " + depth + " deep from " + method);
    }
    System.out.println(calls.size() + " methods, calls go " + deepest + " deep at most");
    if (wrong > 0 || calls.size() < 32) System.exit(1);
  }

  private static Map<String, Set<String>> read() throws IOException {
    JavaCompiler compiler = ToolProvider.getSystemJavaCompiler();
    try (StandardJavaFileManager files = compiler.getStandardFileManager(null, null, null)) {
      JavacTask task = (JavacTask) compiler.getTask(null, files, null, List.of("-proc:none"), null,
          files.getJavaFileObjects(SOURCE));
      Iterable<? extends CompilationUnitTree> units = task.parse();
      task.analyze();
      Calls scanner = new Calls(Trees.instance(task));
      for (CompilationUnitTree unit : units) scanner.scan(unit, null);
      return scanner.calls;
    }
  }

  /** The method itself is the first; one of the library is the last. A method that is open already is too deep. */
  private static int depth(String method, Map<String, Set<String>> calls, Map<String, Integer> known,
      Deque<String> open) {
    if (known.containsKey(method)) return known.get(method);
    if (open.contains(method)) {
      System.out.println("recursion: " + open);
      return DEEPEST + 1;
    }
    open.push(method);
    int below = 0;
    for (String called : calls.getOrDefault(method, Set.of())) {
      below = Math.max(below, depth(called, calls, known, open));
    }
    open.pop();
    known.put(method, below + 1);
    return below + 1;
  }
}
