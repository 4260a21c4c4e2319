public final class FaceTest { public static void main(String[] a) { } }
