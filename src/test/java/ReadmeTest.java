import java.io.ByteArrayOutputStream;
import java.io.IOException;
import java.io.PrintStream;
import java.lang.reflect.Method;
import java.net.URI;
import java.nio.file.Files;
import java.nio.file.Path;
import java.util.List;
import javax.tools.JavaCompiler;
import javax.tools.JavaFileObject;
import javax.tools.SimpleJavaFileObject;
import javax.tools.ToolProvider;

/** The program in README.md compiles, and prints what stands there. */
final class ReadmeTest {
    private static final class Code extends SimpleJavaFileObject {
        private final String code;

        Code(String name, String code) {
            super(URI.create("string:///" + name + ".java"), Kind.SOURCE);
            this.code = code;
        }

        @Override
        public CharSequence getCharContent(boolean ignoreEncodingErrors) {
            return code;
        }
    }

    public static void main(String[] args) throws IOException, ReflectiveOperationException {
        String readme = Files.readString(Path.of("README.md"));
        String classes = System.getProperty("java.class.path");
        JavaCompiler compiler = ToolProvider.getSystemJavaCompiler();
        List<JavaFileObject> code = List.of(new Code("Example", block(readme, "java")));
        Check.yes("the program compiles", compiler.getTask(null, null, null, List.of("-cp", classes, "-d", classes), null, code).call());
        Check.sameText("what it prints", printed(Class.forName("Example").getMethod("main", String[].class)), block(readme, "text"));
        Check.end();
    }

    /** The first block of that language. */
    private static String block(String readme, String language) {
        String opening = "```" + language + "\n";
        int begin = readme.indexOf(opening) + opening.length();
        return readme.substring(begin, readme.indexOf("```", begin));
    }

    private static String printed(Method main) throws ReflectiveOperationException {
        PrintStream before = System.out;
        ByteArrayOutputStream out = new ByteArrayOutputStream();
        System.setOut(new PrintStream(out, true));
        try {
            main.invoke(null, (Object) new String[0]);
        } finally {
            System.setOut(before);
        }
        return out.toString().replace("\r\n", "\n");
    }
}
